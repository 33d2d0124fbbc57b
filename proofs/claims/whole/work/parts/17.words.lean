/-! Printed by wip/tools/s_code.py: words by their places, fields by their numbers. -/
def zall (P : Nat → zO → Prop) : Nat → List zO → Prop
  | _, [] => True
  | b, o :: r => P b o ∧ zall P (b + 1) r
def zallL (P : Nat → zO → Prop) : Nat → List (List zO) → Prop
  | _, [] => True
  | b, c :: r => zall P b c ∧ zallL P (b + 16) r
theorem zall_at {P : Nat → zO → Prop} (hb : ∀ pc, P pc o_bad) : ∀ {c : List zO} {b : Nat}, zall P b c → ∀ i, P (b + i) (c.getD i o_bad)
  | [], b, _, i => hb _
  | o :: r, b, h, 0 => h.1
  | o :: r, b, h, i + 1 => by
    have q := zall_at hb h.2 i
    rw [show b + 1 + i = b + (i + 1) by omega] at q
    exact q
theorem zallL_at {P : Nat → zO → Prop} (hb : ∀ pc, P pc o_bad) : ∀ {c : List (List zO)} {b : Nat}, zallL P b c → ∀ j i, P (b + 16 * j + i) ((c.getD j []).getD i o_bad)
  | [], b, _, j, i => hb _
  | o :: r, b, h, 0, i => by
    have q := zall_at hb h.1 i
    exact q
  | o :: r, b, h, j + 1, i => by
    have q := zallL_at hb h.2 j i
    rw [show b + 16 + 16 * j + i = b + 16 * (j + 1) + i by omega] at q
    exact q
theorem zall_get {P : Nat → zO → Prop} (hb : ∀ pc, P pc o_bad) {c : List (List zO)} (h : zallL P 0 c) (pc : Nat) : P pc (zget c pc o_bad) := by
  have q := zallL_at hb h (pc / 16) (pc % 16)
  rw [show 0 + 16 * (pc / 16) + pc % 16 = pc by omega] at q
  exact q
theorem q_193 : Cond.code objectInit ⟨#[0xb1]⟩ 1 none ∈ zwd := zwd_in 193 (by decide +kernel) rfl
theorem q_191 : Cond.methodLink "CallOpener" 5 ⟨"java/lang/Object", "<init>", "()V"⟩ ∈ zwd := zwd_in 191 (by decide +kernel) rfl
theorem q_192 : Cond.instanceMethod ⟨"java/lang/Object", "<init>", "()V"⟩ ∈ zwd := zwd_in 192 (by decide +kernel) rfl
theorem q_220 : Cond.arrayClass .int ∈ zwd := zwd_in 220 (by decide +kernel) rfl
theorem q_806 : Cond.fieldLink "CallOpener" 13 "CallOpener" "tape" "[I" ∈ zwd := zwd_in 806 (by decide +kernel) rfl
theorem q_807 : Cond.fieldLink "CallOpener" 17 "CallOpener" "arguments" "[I" ∈ zwd := zwd_in 807 (by decide +kernel) rfl
theorem q_194 : Cond.fieldLink "CallOpener" 20 "CallOpener" "SETTING_FIRST" "[I" ∈ zwd := zwd_in 194 (by decide +kernel) rfl
theorem q_200 : Cond.selects "[I" ⟨"[I", "clone", "()Ljava/lang/Object;"⟩ ⟨"java/lang/Object", "clone", "()Ljava/lang/Object;"⟩ ∈ zwd := zwd_in 200 (by decide +kernel) rfl
theorem q_196 : Cond.methodLink "CallOpener" 23 ⟨"[I", "clone", "()Ljava/lang/Object;"⟩ ∈ zwd := zwd_in 196 (by decide +kernel) rfl
theorem q_197 : Cond.sameMethod "[I" "java/lang/Object" "clone" "()Ljava/lang/Object;" ∈ zwd := zwd_in 197 (by decide +kernel) rfl
theorem q_198 : Cond.native ⟨"java/lang/Object", "clone", "()Ljava/lang/Object;"⟩ ∈ zwd := zwd_in 198 (by decide +kernel) rfl
theorem q_199 : Cond.instanceMethod ⟨"java/lang/Object", "clone", "()Ljava/lang/Object;"⟩ ∈ zwd := zwd_in 199 (by decide +kernel) rfl
theorem q_202 : Cond.classLink "CallOpener" 24 "[I" ∈ zwd := zwd_in 202 (by decide +kernel) rfl
theorem q_808 : Cond.fieldLink "CallOpener" 28 "CallOpener" "settings" "[I" ∈ zwd := zwd_in 808 (by decide +kernel) rfl
theorem q_809 : Cond.fieldLink "CallOpener" 31 "CallOpener" "otherSettings" "[I" ∈ zwd := zwd_in 809 (by decide +kernel) rfl
theorem q_203 : Cond.classLink "CallOpener" 34 "CallOpener$Profile" ∈ zwd := zwd_in 203 (by decide +kernel) rfl
theorem q_204 : Cond.instantiable "CallOpener$Profile" 2 ∈ zwd := zwd_in 204 (by decide +kernel) rfl
theorem q_167 : Cond.initialized "CallOpener$Profile" ∈ zwd := zwd_in 167 (by decide +kernel) rfl
theorem q_206 : Cond.instanceMethod ⟨"CallOpener$Profile", "<init>", "()V"⟩ ∈ zwd := zwd_in 206 (by decide +kernel) rfl
theorem q_810 : Cond.fieldLink "CallOpener" 37 "CallOpener" "profile" "LCallOpener$Profile;" ∈ zwd := zwd_in 810 (by decide +kernel) rfl
theorem q_221 : Cond.classLink "CallOpener" 41 "CallOpener$Known" ∈ zwd := zwd_in 221 (by decide +kernel) rfl
theorem q_222 : Cond.instantiable "CallOpener$Known" 7 ∈ zwd := zwd_in 222 (by decide +kernel) rfl
theorem q_168 : Cond.initialized "CallOpener$Known" ∈ zwd := zwd_in 168 (by decide +kernel) rfl
theorem q_224 : Cond.instanceMethod ⟨"CallOpener$Known", "<init>", "()V"⟩ ∈ zwd := zwd_in 224 (by decide +kernel) rfl
theorem q_815 : Cond.fieldLink "CallOpener" 44 "CallOpener" "known" "LCallOpener$Known;" ∈ zwd := zwd_in 815 (by decide +kernel) rfl
theorem q_820 : Cond.fieldLink "CallOpener" 48 "CallOpener" "grownOf" "I" ∈ zwd := zwd_in 820 (by decide +kernel) rfl
theorem q_821 : Cond.fieldLink "CallOpener" 52 "CallOpener" "writtenOf" "I" ∈ zwd := zwd_in 821 (by decide +kernel) rfl
theorem q_282 : Cond.classLink "CallOpener" 55 "CallOpener$Program" ∈ zwd := zwd_in 282 (by decide +kernel) rfl
theorem q_283 : Cond.instantiable "CallOpener$Program" 17 ∈ zwd := zwd_in 283 (by decide +kernel) rfl
theorem q_170 : Cond.initialized "CallOpener$Program" ∈ zwd := zwd_in 170 (by decide +kernel) rfl
theorem q_285 : Cond.instanceMethod ⟨"CallOpener$Program", "<init>", "()V"⟩ ∈ zwd := zwd_in 285 (by decide +kernel) rfl
theorem q_817 : Cond.fieldLink "CallOpener" 58 "CallOpener" "told" "LCallOpener$Program;" ∈ zwd := zwd_in 817 (by decide +kernel) rfl
theorem q_818 : Cond.fieldLink "CallOpener" 62 "CallOpener" "spare" "LCallOpener$Program;" ∈ zwd := zwd_in 818 (by decide +kernel) rfl
theorem q_485 : Cond.classLink "CallOpener" 65 "CallOpener$Reader" ∈ zwd := zwd_in 485 (by decide +kernel) rfl
theorem q_486 : Cond.instantiable "CallOpener$Reader" 17 ∈ zwd := zwd_in 486 (by decide +kernel) rfl
theorem q_172 : Cond.initialized "CallOpener$Reader" ∈ zwd := zwd_in 172 (by decide +kernel) rfl
theorem q_487 : Cond.methodLink "CallOpener" 67 ⟨"CallOpener$Reader", "<init>", "(LCallOpener$Program;)V"⟩ ∈ zwd := zwd_in 487 (by decide +kernel) rfl
theorem q_488 : Cond.instanceMethod ⟨"CallOpener$Reader", "<init>", "(LCallOpener$Program;)V"⟩ ∈ zwd := zwd_in 488 (by decide +kernel) rfl
theorem q_811 : Cond.fieldLink "CallOpener" 70 "CallOpener" "reader" "LCallOpener$Reader;" ∈ zwd := zwd_in 811 (by decide +kernel) rfl
theorem q_543 : Cond.classLink "CallOpener" 74 "CallOpener$Machine" ∈ zwd := zwd_in 543 (by decide +kernel) rfl
theorem q_544 : Cond.instantiable "CallOpener$Machine" 16 ∈ zwd := zwd_in 544 (by decide +kernel) rfl
theorem q_173 : Cond.initialized "CallOpener$Machine" ∈ zwd := zwd_in 173 (by decide +kernel) rfl
theorem q_545 : Cond.methodLink "CallOpener" 76 ⟨"CallOpener$Machine", "<init>", "(LCallOpener$Program;)V"⟩ ∈ zwd := zwd_in 545 (by decide +kernel) rfl
theorem q_546 : Cond.instanceMethod ⟨"CallOpener$Machine", "<init>", "(LCallOpener$Program;)V"⟩ ∈ zwd := zwd_in 546 (by decide +kernel) rfl
theorem q_812 : Cond.fieldLink "CallOpener" 77 "CallOpener" "machine" "LCallOpener$Machine;" ∈ zwd := zwd_in 812 (by decide +kernel) rfl
theorem q_603 : Cond.classLink "CallOpener" 81 "CallOpener$Tree" ∈ zwd := zwd_in 603 (by decide +kernel) rfl
theorem q_604 : Cond.instantiable "CallOpener$Tree" 14 ∈ zwd := zwd_in 604 (by decide +kernel) rfl
theorem q_174 : Cond.initialized "CallOpener$Tree" ∈ zwd := zwd_in 174 (by decide +kernel) rfl
theorem q_605 : Cond.methodLink "CallOpener" 83 ⟨"CallOpener$Tree", "<init>", "(LCallOpener$Program;)V"⟩ ∈ zwd := zwd_in 605 (by decide +kernel) rfl
theorem q_606 : Cond.instanceMethod ⟨"CallOpener$Tree", "<init>", "(LCallOpener$Program;)V"⟩ ∈ zwd := zwd_in 606 (by decide +kernel) rfl
theorem q_813 : Cond.fieldLink "CallOpener" 84 "CallOpener" "grown" "LCallOpener$Tree;" ∈ zwd := zwd_in 813 (by decide +kernel) rfl
theorem q_731 : Cond.classLink "CallOpener" 88 "CallOpener$Result" ∈ zwd := zwd_in 731 (by decide +kernel) rfl
theorem q_732 : Cond.instantiable "CallOpener$Result" 4 ∈ zwd := zwd_in 732 (by decide +kernel) rfl
theorem q_176 : Cond.initialized "CallOpener$Result" ∈ zwd := zwd_in 176 (by decide +kernel) rfl
theorem q_733 : Cond.methodLink "CallOpener" 90 ⟨"CallOpener$Result", "<init>", "(LCallOpener$Program;)V"⟩ ∈ zwd := zwd_in 733 (by decide +kernel) rfl
theorem q_734 : Cond.instanceMethod ⟨"CallOpener$Result", "<init>", "(LCallOpener$Program;)V"⟩ ∈ zwd := zwd_in 734 (by decide +kernel) rfl
theorem q_814 : Cond.fieldLink "CallOpener" 91 "CallOpener" "written" "LCallOpener$Result;" ∈ zwd := zwd_in 814 (by decide +kernel) rfl
theorem q_758 : Cond.classLink "CallOpener" 95 "CallOpener$Best" ∈ zwd := zwd_in 758 (by decide +kernel) rfl
theorem q_759 : Cond.instantiable "CallOpener$Best" 13 ∈ zwd := zwd_in 759 (by decide +kernel) rfl
theorem q_177 : Cond.initialized "CallOpener$Best" ∈ zwd := zwd_in 177 (by decide +kernel) rfl
theorem q_760 : Cond.methodLink "CallOpener" 97 ⟨"CallOpener$Best", "<init>", "(LCallOpener$Program;)V"⟩ ∈ zwd := zwd_in 760 (by decide +kernel) rfl
theorem q_761 : Cond.instanceMethod ⟨"CallOpener$Best", "<init>", "(LCallOpener$Program;)V"⟩ ∈ zwd := zwd_in 761 (by decide +kernel) rfl
theorem q_816 : Cond.fieldLink "CallOpener" 98 "CallOpener" "chooser" "LCallOpener$Best;" ∈ zwd := zwd_in 816 (by decide +kernel) rfl
theorem q_819 : Cond.fieldLink "CallOpener" 102 "CallOpener" "taped" "I" ∈ zwd := zwd_in 819 (by decide +kernel) rfl
theorem q_859 : Cond.methodLink "CallOpener" 105 ⟨"CallOpener", "putBytes", "(I)V"⟩ ∈ zwd := zwd_in 859 (by decide +kernel) rfl
theorem q_861 : Cond.instanceMethod ⟨"CallOpener", "putBytes", "(I)V"⟩ ∈ zwd := zwd_in 861 (by decide +kernel) rfl
theorem q_0 : Cond.selects "CallOpener" ⟨"CallOpener", "putBytes", "(I)V"⟩ ⟨"CallOpener", "putBytes", "(I)V"⟩ ∈ zwd := zwd_in 0 (by decide +kernel) rfl
theorem q_166 : Cond.initialized "CallOpener" ∈ zwd := zwd_in 166 (by decide +kernel) rfl
theorem q_867 : Cond.methodLink "CallOpener" 109 ⟨"CallOpener$Reader", "readProgram", "([IILCallOpener$Program;)I"⟩ ∈ zwd := zwd_in 867 (by decide +kernel) rfl
theorem q_868 : Cond.instanceMethod ⟨"CallOpener$Reader", "readProgram", "([IILCallOpener$Program;)I"⟩ ∈ zwd := zwd_in 868 (by decide +kernel) rfl
theorem q_869 : Cond.selects "CallOpener$Reader" ⟨"CallOpener$Reader", "readProgram", "([IILCallOpener$Program;)I"⟩ ⟨"CallOpener$Reader", "readProgram", "([IILCallOpener$Program;)I"⟩ ∈ zwd := zwd_in 869 (by decide +kernel) rfl
theorem q_1076 : Cond.methodLink "CallOpener" 113 ⟨"CallOpener$Profile", "clear", "()V"⟩ ∈ zwd := zwd_in 1076 (by decide +kernel) rfl
theorem q_1077 : Cond.instanceMethod ⟨"CallOpener$Profile", "clear", "()V"⟩ ∈ zwd := zwd_in 1077 (by decide +kernel) rfl
theorem q_1078 : Cond.selects "CallOpener$Profile" ⟨"CallOpener$Profile", "clear", "()V"⟩ ⟨"CallOpener$Profile", "clear", "()V"⟩ ∈ zwd := zwd_in 1078 (by decide +kernel) rfl
theorem q_1083 : Cond.methodLink "CallOpener" 116 ⟨"CallOpener", "outdate", "()V"⟩ ∈ zwd := zwd_in 1083 (by decide +kernel) rfl
theorem q_1085 : Cond.instanceMethod ⟨"CallOpener", "outdate", "()V"⟩ ∈ zwd := zwd_in 1085 (by decide +kernel) rfl
theorem q_28 : Cond.selects "CallOpener" ⟨"CallOpener", "outdate", "()V"⟩ ⟨"CallOpener", "outdate", "()V"⟩ ∈ zwd := zwd_in 28 (by decide +kernel) rfl
theorem q_380 : Cond.fieldLink "CallOpener" 119 "CallOpener$Program" "functions" "I" ∈ zwd := zwd_in 380 (by decide +kernel) rfl
theorem pF_11_0 {l : Launch} {G : zG} {mi pc nx idx : Nat} (hini : (zyn mi).name = "<init>") (hde : "CallOpener" = (zyn mi).cls) (hl : Cond.fieldLink (zyn mi).cls idx "CallOpener" "tape" "[I" ∈ zwd) (hd : decode (zby mi) pc = .ok (.putfield idx, 3)) (hn : pc + 3 = nx) : zSnd l G mi pc (o_putF zshp nx 11 0) := s_putF (ci := 11) (k := 0) (T := TX11) (N := 16) rfl inX11 (by decide +kernel) (by decide) tyX11 tyX11_ok nmX11 (by decide +kernel) rfl hini hde (fun _ => rfl) (fun _ => rfl) hl hd hn
theorem pF_11_1 {l : Launch} {G : zG} {mi pc nx idx : Nat} (hini : (zyn mi).name = "<init>") (hde : "CallOpener" = (zyn mi).cls) (hl : Cond.fieldLink (zyn mi).cls idx "CallOpener" "arguments" "[I" ∈ zwd) (hd : decode (zby mi) pc = .ok (.putfield idx, 3)) (hn : pc + 3 = nx) : zSnd l G mi pc (o_putF zshp nx 11 1) := s_putF (ci := 11) (k := 1) (T := TX11) (N := 16) rfl inX11 (by decide +kernel) (by decide) tyX11 tyX11_ok nmX11 (by decide +kernel) rfl hini hde (fun _ => rfl) (fun _ => rfl) hl hd hn
theorem pF_11_2 {l : Launch} {G : zG} {mi pc nx idx : Nat} (hini : (zyn mi).name = "<init>") (hde : "CallOpener" = (zyn mi).cls) (hl : Cond.fieldLink (zyn mi).cls idx "CallOpener" "settings" "[I" ∈ zwd) (hd : decode (zby mi) pc = .ok (.putfield idx, 3)) (hn : pc + 3 = nx) : zSnd l G mi pc (o_putF zshp nx 11 2) := s_putF (ci := 11) (k := 2) (T := TX11) (N := 16) rfl inX11 (by decide +kernel) (by decide) tyX11 tyX11_ok nmX11 (by decide +kernel) rfl hini hde (fun _ => rfl) (fun _ => rfl) hl hd hn
theorem pF_11_3 {l : Launch} {G : zG} {mi pc nx idx : Nat} (hini : (zyn mi).name = "<init>") (hde : "CallOpener" = (zyn mi).cls) (hl : Cond.fieldLink (zyn mi).cls idx "CallOpener" "otherSettings" "[I" ∈ zwd) (hd : decode (zby mi) pc = .ok (.putfield idx, 3)) (hn : pc + 3 = nx) : zSnd l G mi pc (o_putF zshp nx 11 3) := s_putF (ci := 11) (k := 3) (T := TX11) (N := 16) rfl inX11 (by decide +kernel) (by decide) tyX11 tyX11_ok nmX11 (by decide +kernel) rfl hini hde (fun _ => rfl) (fun _ => rfl) hl hd hn
theorem w0_203 : Cond.code (zyn 203) (zby 203) (zmx 203) (zrt 203) ∈ zwd := zwd_in 207 (by decide +kernel) rfl
theorem hdn_203 : (zyn 203).cls ≠ "java/lang/invoke/MethodHandle" ∧ (zyn 203).cls ≠ "java/lang/invoke/VarHandle" ∧ (parseMethodDescriptor (zyn 203).desc).map (fun d => d.parameters.length) = some 0 := by decide +kernel
theorem pF_11_4 {l : Launch} {G : zG} {mi pc nx idx : Nat} (hini : (zyn mi).name = "<init>") (hde : "CallOpener" = (zyn mi).cls) (hl : Cond.fieldLink (zyn mi).cls idx "CallOpener" "profile" "LCallOpener$Profile;" ∈ zwd) (hd : decode (zby mi) pc = .ok (.putfield idx, 3)) (hn : pc + 3 = nx) : zSnd l G mi pc (o_putF zshp nx 11 4) := s_putF (ci := 11) (k := 4) (T := TX11) (N := 16) rfl inX11 (by decide +kernel) (by decide) tyX11 tyX11_ok nmX11 (by decide +kernel) rfl hini hde (fun _ => rfl) (fun _ => rfl) hl hd hn
theorem w0_164 : Cond.code (zyn 164) (zby 164) (zmx 164) (zrt 164) ∈ zwd := zwd_in 225 (by decide +kernel) rfl
theorem hdn_164 : (zyn 164).cls ≠ "java/lang/invoke/MethodHandle" ∧ (zyn 164).cls ≠ "java/lang/invoke/VarHandle" ∧ (parseMethodDescriptor (zyn 164).desc).map (fun d => d.parameters.length) = some 0 := by decide +kernel
theorem pF_11_9 {l : Launch} {G : zG} {mi pc nx idx : Nat} (hini : (zyn mi).name = "<init>") (hde : "CallOpener" = (zyn mi).cls) (hl : Cond.fieldLink (zyn mi).cls idx "CallOpener" "known" "LCallOpener$Known;" ∈ zwd) (hd : decode (zby mi) pc = .ok (.putfield idx, 3)) (hn : pc + 3 = nx) : zSnd l G mi pc (o_putF zshp nx 11 9) := s_putF (ci := 11) (k := 9) (T := TX11) (N := 16) rfl inX11 (by decide +kernel) (by decide) tyX11 tyX11_ok nmX11 (by decide +kernel) rfl hini hde (fun _ => rfl) (fun _ => rfl) hl hd hn
theorem pI_11_14 {l : Launch} {G : zG} {mi pc nx idx : Nat} (hl : Cond.fieldLink (zyn mi).cls idx "CallOpener" "grownOf" "I" ∈ zwd) (hd : decode (zby mi) pc = .ok (.putfield idx, 3)) (hn : pc + 3 = nx) : zSnd l G mi pc (o_putI zshp nx 11 14) := s_putI (ci := 11) (k := 14) (kk := 14) (T := TX11) (N := 16) rfl inX11 (by decide +kernel) (by decide) rfl tyX11 tyX11_ok nmX11 (by decide +kernel) rfl rfl hl hd hn
theorem pI_11_15 {l : Launch} {G : zG} {mi pc nx idx : Nat} (hl : Cond.fieldLink (zyn mi).cls idx "CallOpener" "writtenOf" "I" ∈ zwd) (hd : decode (zby mi) pc = .ok (.putfield idx, 3)) (hn : pc + 3 = nx) : zSnd l G mi pc (o_putI zshp nx 11 15) := s_putI (ci := 11) (k := 15) (kk := 15) (T := TX11) (N := 16) rfl inX11 (by decide +kernel) (by decide) rfl tyX11 tyX11_ok nmX11 (by decide +kernel) rfl rfl hl hd hn
theorem w0_210 : Cond.code (zyn 210) (zby 210) (zmx 210) (zrt 210) ∈ zwd := zwd_in 286 (by decide +kernel) rfl
theorem hdn_210 : (zyn 210).cls ≠ "java/lang/invoke/MethodHandle" ∧ (zyn 210).cls ≠ "java/lang/invoke/VarHandle" ∧ (parseMethodDescriptor (zyn 210).desc).map (fun d => d.parameters.length) = some 0 := by decide +kernel
theorem pP_11_11 {l : Launch} {G : zG} {mi pc nx idx : Nat} (hl : Cond.fieldLink (zyn mi).cls idx "CallOpener" "told" "LCallOpener$Program;" ∈ zwd) (hd : decode (zby mi) pc = .ok (.putfield idx, 3)) (hn : pc + 3 = nx) : zSnd l G mi pc (o_putP zshp nx 11 11) := s_putP (ci := 11) (k := 11) (T := TX11) (N := 16) rfl inX11 (by decide +kernel) (by decide) tyX11 tyX11_ok nmX11 (by decide +kernel) rfl (fun _ => rfl) (fun _ => rfl) hl hd hn
theorem pP_11_12 {l : Launch} {G : zG} {mi pc nx idx : Nat} (hl : Cond.fieldLink (zyn mi).cls idx "CallOpener" "spare" "LCallOpener$Program;" ∈ zwd) (hd : decode (zby mi) pc = .ok (.putfield idx, 3)) (hn : pc + 3 = nx) : zSnd l G mi pc (o_putP zshp nx 11 12) := s_putP (ci := 11) (k := 12) (T := TX11) (N := 16) rfl inX11 (by decide +kernel) (by decide) tyX11 tyX11_ok nmX11 (by decide +kernel) rfl (fun _ => rfl) (fun _ => rfl) hl hd hn
theorem w0_220 : Cond.code (zyn 220) (zby 220) (zmx 220) (zrt 220) ∈ zwd := zwd_in 489 (by decide +kernel) rfl
theorem hdn_220 : (zyn 220).cls ≠ "java/lang/invoke/MethodHandle" ∧ (zyn 220).cls ≠ "java/lang/invoke/VarHandle" ∧ (parseMethodDescriptor (zyn 220).desc).map (fun d => d.parameters.length) = some 1 := by decide +kernel
theorem pF_11_5 {l : Launch} {G : zG} {mi pc nx idx : Nat} (hini : (zyn mi).name = "<init>") (hde : "CallOpener" = (zyn mi).cls) (hl : Cond.fieldLink (zyn mi).cls idx "CallOpener" "reader" "LCallOpener$Reader;" ∈ zwd) (hd : decode (zby mi) pc = .ok (.putfield idx, 3)) (hn : pc + 3 = nx) : zSnd l G mi pc (o_putF zshp nx 11 5) := s_putF (ci := 11) (k := 5) (T := TX11) (N := 16) rfl inX11 (by decide +kernel) (by decide) tyX11 tyX11_ok nmX11 (by decide +kernel) rfl hini hde (fun _ => rfl) (fun _ => rfl) hl hd hn
theorem w0_185 : Cond.code (zyn 185) (zby 185) (zmx 185) (zrt 185) ∈ zwd := zwd_in 547 (by decide +kernel) rfl
theorem hdn_185 : (zyn 185).cls ≠ "java/lang/invoke/MethodHandle" ∧ (zyn 185).cls ≠ "java/lang/invoke/VarHandle" ∧ (parseMethodDescriptor (zyn 185).desc).map (fun d => d.parameters.length) = some 1 := by decide +kernel
theorem pF_11_6 {l : Launch} {G : zG} {mi pc nx idx : Nat} (hini : (zyn mi).name = "<init>") (hde : "CallOpener" = (zyn mi).cls) (hl : Cond.fieldLink (zyn mi).cls idx "CallOpener" "machine" "LCallOpener$Machine;" ∈ zwd) (hd : decode (zby mi) pc = .ok (.putfield idx, 3)) (hn : pc + 3 = nx) : zSnd l G mi pc (o_putF zshp nx 11 6) := s_putF (ci := 11) (k := 6) (T := TX11) (N := 16) rfl inX11 (by decide +kernel) (by decide) tyX11 tyX11_ok nmX11 (by decide +kernel) rfl hini hde (fun _ => rfl) (fun _ => rfl) hl hd hn
theorem w0_261 : Cond.code (zyn 261) (zby 261) (zmx 261) (zrt 261) ∈ zwd := zwd_in 607 (by decide +kernel) rfl
theorem hdn_261 : (zyn 261).cls ≠ "java/lang/invoke/MethodHandle" ∧ (zyn 261).cls ≠ "java/lang/invoke/VarHandle" ∧ (parseMethodDescriptor (zyn 261).desc).map (fun d => d.parameters.length) = some 1 := by decide +kernel
theorem pF_11_7 {l : Launch} {G : zG} {mi pc nx idx : Nat} (hini : (zyn mi).name = "<init>") (hde : "CallOpener" = (zyn mi).cls) (hl : Cond.fieldLink (zyn mi).cls idx "CallOpener" "grown" "LCallOpener$Tree;" ∈ zwd) (hd : decode (zby mi) pc = .ok (.putfield idx, 3)) (hn : pc + 3 = nx) : zSnd l G mi pc (o_putF zshp nx 11 7) := s_putF (ci := 11) (k := 7) (T := TX11) (N := 16) rfl inX11 (by decide +kernel) (by decide) tyX11 tyX11_ok nmX11 (by decide +kernel) rfl hini hde (fun _ => rfl) (fun _ => rfl) hl hd hn
theorem w0_254 : Cond.code (zyn 254) (zby 254) (zmx 254) (zrt 254) ∈ zwd := zwd_in 735 (by decide +kernel) rfl
theorem hdn_254 : (zyn 254).cls ≠ "java/lang/invoke/MethodHandle" ∧ (zyn 254).cls ≠ "java/lang/invoke/VarHandle" ∧ (parseMethodDescriptor (zyn 254).desc).map (fun d => d.parameters.length) = some 1 := by decide +kernel
theorem pF_11_8 {l : Launch} {G : zG} {mi pc nx idx : Nat} (hini : (zyn mi).name = "<init>") (hde : "CallOpener" = (zyn mi).cls) (hl : Cond.fieldLink (zyn mi).cls idx "CallOpener" "written" "LCallOpener$Result;" ∈ zwd) (hd : decode (zby mi) pc = .ok (.putfield idx, 3)) (hn : pc + 3 = nx) : zSnd l G mi pc (o_putF zshp nx 11 8) := s_putF (ci := 11) (k := 8) (T := TX11) (N := 16) rfl inX11 (by decide +kernel) (by decide) tyX11 tyX11_ok nmX11 (by decide +kernel) rfl hini hde (fun _ => rfl) (fun _ => rfl) hl hd hn
theorem w0_153 : Cond.code (zyn 153) (zby 153) (zmx 153) (zrt 153) ∈ zwd := zwd_in 762 (by decide +kernel) rfl
theorem hdn_153 : (zyn 153).cls ≠ "java/lang/invoke/MethodHandle" ∧ (zyn 153).cls ≠ "java/lang/invoke/VarHandle" ∧ (parseMethodDescriptor (zyn 153).desc).map (fun d => d.parameters.length) = some 1 := by decide +kernel
theorem pF_11_10 {l : Launch} {G : zG} {mi pc nx idx : Nat} (hini : (zyn mi).name = "<init>") (hde : "CallOpener" = (zyn mi).cls) (hl : Cond.fieldLink (zyn mi).cls idx "CallOpener" "chooser" "LCallOpener$Best;" ∈ zwd) (hd : decode (zby mi) pc = .ok (.putfield idx, 3)) (hn : pc + 3 = nx) : zSnd l G mi pc (o_putF zshp nx 11 10) := s_putF (ci := 11) (k := 10) (T := TX11) (N := 16) rfl inX11 (by decide +kernel) (by decide) tyX11 tyX11_ok nmX11 (by decide +kernel) rfl hini hde (fun _ => rfl) (fun _ => rfl) hl hd hn
theorem gI_11_13 {l : Launch} {G : zG} {mi pc nx idx : Nat} (hl : Cond.fieldLink (zyn mi).cls idx "CallOpener" "taped" "I" ∈ zwd) (hd : decode (zby mi) pc = .ok (.getfield idx, 3)) (hn : pc + 3 = nx) : zSnd l G mi pc (o_getI zshp nx 11 13) := s_getI (ci := 11) (k := 13) (kk := 13) (T := TX11) (N := 16) rfl inX11 (by decide +kernel) (by decide) rfl (by decide +kernel) (by decide +kernel) hl hd hn
theorem w0_26 : Cond.code (zyn 26) (zby 26) (zmx 26) (zrt 26) ∈ zwd := zwd_in 862 (by decide +kernel) rfl
theorem hdn_26 : (zyn 26).cls ≠ "java/lang/invoke/MethodHandle" ∧ (zyn 26).cls ≠ "java/lang/invoke/VarHandle" ∧ (parseMethodDescriptor (zyn 26).desc).map (fun d => d.parameters.length) = some 1 := by decide +kernel
theorem pI_11_13 {l : Launch} {G : zG} {mi pc nx idx : Nat} (hl : Cond.fieldLink (zyn mi).cls idx "CallOpener" "taped" "I" ∈ zwd) (hd : decode (zby mi) pc = .ok (.putfield idx, 3)) (hn : pc + 3 = nx) : zSnd l G mi pc (o_putI zshp nx 11 13) := s_putI (ci := 11) (k := 13) (kk := 13) (T := TX11) (N := 16) rfl inX11 (by decide +kernel) (by decide) rfl tyX11 tyX11_ok nmX11 (by decide +kernel) rfl rfl hl hd hn
theorem gF_11_5 {l : Launch} {G : zG} {mi pc nx idx : Nat} (hl : Cond.fieldLink (zyn mi).cls idx "CallOpener" "reader" "LCallOpener$Reader;" ∈ zwd) (hd : decode (zby mi) pc = .ok (.getfield idx, 3)) (hn : pc + 3 = nx) : zSnd l G mi pc (o_getF zshp nx 11 5) := s_getF (ci := 11) (k := 5) (T := TX11) (N := 16) rfl inX11 (by decide +kernel) (by decide) (by decide +kernel) hl hd hn
theorem gF_11_0 {l : Launch} {G : zG} {mi pc nx idx : Nat} (hl : Cond.fieldLink (zyn mi).cls idx "CallOpener" "tape" "[I" ∈ zwd) (hd : decode (zby mi) pc = .ok (.getfield idx, 3)) (hn : pc + 3 = nx) : zSnd l G mi pc (o_getF zshp nx 11 0) := s_getF (ci := 11) (k := 0) (T := TX11) (N := 16) rfl inX11 (by decide +kernel) (by decide) (by decide +kernel) hl hd hn
theorem gP_11_12 {l : Launch} {G : zG} {mi pc nx idx : Nat} (hl : Cond.fieldLink (zyn mi).cls idx "CallOpener" "spare" "LCallOpener$Program;" ∈ zwd) (hd : decode (zby mi) pc = .ok (.getfield idx, 3)) (hn : pc + 3 = nx) : zSnd l G mi pc (o_getP zshp nx 11 12) := s_getP (ci := 11) (k := 12) (T := TX11) (N := 16) rfl inX11 (by decide +kernel) (by decide) (by decide +kernel) hl hd hn
theorem w0_221 : Cond.code (zyn 221) (zby 221) (zmx 221) (zrt 221) ∈ zwd := zwd_in 870 (by decide +kernel) rfl
theorem hdn_221 : (zyn 221).cls ≠ "java/lang/invoke/MethodHandle" ∧ (zyn 221).cls ≠ "java/lang/invoke/VarHandle" ∧ (parseMethodDescriptor (zyn 221).desc).map (fun d => d.parameters.length) = some 3 := by decide +kernel
theorem gP_11_11 {l : Launch} {G : zG} {mi pc nx idx : Nat} (hl : Cond.fieldLink (zyn mi).cls idx "CallOpener" "told" "LCallOpener$Program;" ∈ zwd) (hd : decode (zby mi) pc = .ok (.getfield idx, 3)) (hn : pc + 3 = nx) : zSnd l G mi pc (o_getP zshp nx 11 11) := s_getP (ci := 11) (k := 11) (T := TX11) (N := 16) rfl inX11 (by decide +kernel) (by decide) (by decide +kernel) hl hd hn
theorem gF_11_4 {l : Launch} {G : zG} {mi pc nx idx : Nat} (hl : Cond.fieldLink (zyn mi).cls idx "CallOpener" "profile" "LCallOpener$Profile;" ∈ zwd) (hd : decode (zby mi) pc = .ok (.getfield idx, 3)) (hn : pc + 3 = nx) : zSnd l G mi pc (o_getF zshp nx 11 4) := s_getF (ci := 11) (k := 4) (T := TX11) (N := 16) rfl inX11 (by decide +kernel) (by decide) (by decide +kernel) hl hd hn
theorem w0_204 : Cond.code (zyn 204) (zby 204) (zmx 204) (zrt 204) ∈ zwd := zwd_in 1079 (by decide +kernel) rfl
theorem hdn_204 : (zyn 204).cls ≠ "java/lang/invoke/MethodHandle" ∧ (zyn 204).cls ≠ "java/lang/invoke/VarHandle" ∧ (parseMethodDescriptor (zyn 204).desc).map (fun d => d.parameters.length) = some 0 := by decide +kernel
theorem w0_30 : Cond.code (zyn 30) (zby 30) (zmx 30) (zrt 30) ∈ zwd := zwd_in 1086 (by decide +kernel) rfl
theorem hdn_30 : (zyn 30).cls ≠ "java/lang/invoke/MethodHandle" ∧ (zyn 30).cls ≠ "java/lang/invoke/VarHandle" ∧ (parseMethodDescriptor (zyn 30).desc).map (fun d => d.parameters.length) = some 0 := by decide +kernel
theorem gI_7_0 {l : Launch} {G : zG} {mi pc nx idx : Nat} (hl : Cond.fieldLink (zyn mi).cls idx "CallOpener$Program" "functions" "I" ∈ zwd) (hd : decode (zby mi) pc = .ok (.getfield idx, 3)) (hn : pc + 3 = nx) : zSnd l G mi pc (o_getI zshp nx 7 0) := s_getI (ci := 7) (k := 0) (kk := 0) (T := TX7) (N := 17) rfl inX7 (by decide +kernel) (by decide) rfl (by decide +kernel) (by decide +kernel) hl hd hn
