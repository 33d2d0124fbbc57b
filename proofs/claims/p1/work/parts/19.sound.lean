/-! What the small machine does, the JVM does; the claim out of one walk of the small machine. -/
def zallG {α : Type} (P : Nat → α → Prop) : Nat → List α → Prop
  | _, [] => True
  | b, o :: r => P b o ∧ zallG P (b + 1) r
theorem zallG_at {α : Type} {P : Nat → α → Prop} {z : α} (hb : ∀ i, P i z) : ∀ {c : List α} {b : Nat}, zallG P b c → ∀ i, P (b + i) (c.getD i z)
  | [], b, _, i => hb _
  | o :: r, b, h, 0 => h.1
  | o :: r, b, h, i + 1 => by
    have q := zallG_at hb h.2 i
    rw [show b + 1 + i = b + (i + 1) by omega] at q
    exact q
abbrev zPm (l : Launch) (G : zG) : Nat → List (List zO) → Prop := fun mi code => zallL (zSnd l G mi) 0 code
theorem mm_0 {l : Launch} {G : zG} : zallG (zPm l G) 0 (zmtL.getD 0 []) := ⟨m_0, ⟨m_1, ⟨m_2, ⟨m_3, ⟨m_4, ⟨m_5, ⟨m_6, ⟨m_7, ⟨m_8, ⟨m_9, ⟨m_10, ⟨m_11, ⟨m_12, ⟨m_13, ⟨m_14, ⟨m_15, True.intro⟩⟩⟩⟩⟩⟩⟩⟩⟩⟩⟩⟩⟩⟩⟩⟩
theorem mm_1 {l : Launch} {G : zG} : zallG (zPm l G) 16 (zmtL.getD 1 []) := ⟨m_16, ⟨m_17, ⟨m_18, ⟨m_19, ⟨m_20, ⟨m_21, ⟨m_22, ⟨m_23, ⟨m_24, ⟨m_25, ⟨m_26, ⟨m_27, ⟨m_28, ⟨m_29, ⟨m_30, ⟨m_31, True.intro⟩⟩⟩⟩⟩⟩⟩⟩⟩⟩⟩⟩⟩⟩⟩⟩
theorem mm_2 {l : Launch} {G : zG} : zallG (zPm l G) 32 (zmtL.getD 2 []) := ⟨m_32, ⟨m_33, ⟨m_34, ⟨m_35, ⟨m_36, ⟨m_37, ⟨m_38, ⟨m_39, ⟨m_40, ⟨m_41, ⟨m_42, ⟨m_43, ⟨m_44, ⟨m_45, ⟨m_46, ⟨m_47, True.intro⟩⟩⟩⟩⟩⟩⟩⟩⟩⟩⟩⟩⟩⟩⟩⟩
theorem mm_3 {l : Launch} {G : zG} : zallG (zPm l G) 48 (zmtL.getD 3 []) := ⟨m_48, ⟨m_49, ⟨m_50, ⟨m_51, ⟨m_52, ⟨m_53, ⟨m_54, ⟨m_55, ⟨m_56, ⟨m_57, ⟨m_58, ⟨m_59, ⟨m_60, ⟨m_61, ⟨m_62, ⟨m_63, True.intro⟩⟩⟩⟩⟩⟩⟩⟩⟩⟩⟩⟩⟩⟩⟩⟩
theorem mm_4 {l : Launch} {G : zG} : zallG (zPm l G) 64 (zmtL.getD 4 []) := ⟨m_64, ⟨m_65, ⟨m_66, ⟨m_67, ⟨m_68, ⟨m_69, ⟨m_70, ⟨m_71, ⟨m_72, ⟨m_73, ⟨m_74, ⟨m_75, ⟨m_76, ⟨m_77, ⟨m_78, ⟨m_79, True.intro⟩⟩⟩⟩⟩⟩⟩⟩⟩⟩⟩⟩⟩⟩⟩⟩
theorem mm_5 {l : Launch} {G : zG} : zallG (zPm l G) 80 (zmtL.getD 5 []) := ⟨m_80, ⟨m_81, ⟨m_82, ⟨m_83, ⟨m_84, ⟨m_85, ⟨m_86, ⟨m_87, ⟨m_88, ⟨m_89, ⟨m_90, ⟨m_91, ⟨m_92, ⟨m_93, ⟨m_94, ⟨m_95, True.intro⟩⟩⟩⟩⟩⟩⟩⟩⟩⟩⟩⟩⟩⟩⟩⟩
theorem mm_6 {l : Launch} {G : zG} : zallG (zPm l G) 96 (zmtL.getD 6 []) := ⟨m_96, ⟨m_97, ⟨m_98, ⟨m_99, ⟨m_100, ⟨m_101, ⟨m_102, ⟨m_103, ⟨m_104, ⟨m_105, ⟨m_106, ⟨m_107, ⟨m_108, ⟨m_109, ⟨m_110, ⟨m_111, True.intro⟩⟩⟩⟩⟩⟩⟩⟩⟩⟩⟩⟩⟩⟩⟩⟩
theorem mm_7 {l : Launch} {G : zG} : zallG (zPm l G) 112 (zmtL.getD 7 []) := ⟨m_112, ⟨m_113, ⟨m_114, ⟨m_115, ⟨m_116, ⟨m_117, ⟨m_118, ⟨m_119, ⟨m_120, ⟨m_121, ⟨m_122, ⟨m_123, ⟨m_124, ⟨m_125, ⟨m_126, ⟨m_127, True.intro⟩⟩⟩⟩⟩⟩⟩⟩⟩⟩⟩⟩⟩⟩⟩⟩
theorem mm_8 {l : Launch} {G : zG} : zallG (zPm l G) 128 (zmtL.getD 8 []) := ⟨m_128, ⟨m_129, ⟨m_130, ⟨m_131, ⟨m_132, ⟨m_133, ⟨m_134, ⟨m_135, ⟨m_136, ⟨m_137, ⟨m_138, ⟨m_139, ⟨m_140, ⟨m_141, ⟨m_142, ⟨m_143, True.intro⟩⟩⟩⟩⟩⟩⟩⟩⟩⟩⟩⟩⟩⟩⟩⟩
theorem mm_9 {l : Launch} {G : zG} : zallG (zPm l G) 144 (zmtL.getD 9 []) := ⟨m_144, ⟨m_145, ⟨m_146, ⟨m_147, ⟨m_148, ⟨m_149, ⟨m_150, ⟨m_151, ⟨m_152, ⟨m_153, ⟨m_154, ⟨m_155, ⟨m_156, ⟨m_157, ⟨m_158, ⟨m_159, True.intro⟩⟩⟩⟩⟩⟩⟩⟩⟩⟩⟩⟩⟩⟩⟩⟩
theorem mm_10 {l : Launch} {G : zG} : zallG (zPm l G) 160 (zmtL.getD 10 []) := ⟨m_160, ⟨m_161, ⟨m_162, ⟨m_163, ⟨m_164, ⟨m_165, ⟨m_166, ⟨m_167, ⟨m_168, ⟨m_169, ⟨m_170, ⟨m_171, ⟨m_172, ⟨m_173, ⟨m_174, ⟨m_175, True.intro⟩⟩⟩⟩⟩⟩⟩⟩⟩⟩⟩⟩⟩⟩⟩⟩
theorem mm_11 {l : Launch} {G : zG} : zallG (zPm l G) 176 (zmtL.getD 11 []) := ⟨m_176, ⟨m_177, ⟨m_178, ⟨m_179, ⟨m_180, ⟨m_181, ⟨m_182, ⟨m_183, ⟨m_184, ⟨m_185, ⟨m_186, ⟨m_187, ⟨m_188, ⟨m_189, ⟨m_190, ⟨m_191, True.intro⟩⟩⟩⟩⟩⟩⟩⟩⟩⟩⟩⟩⟩⟩⟩⟩
theorem mm_12 {l : Launch} {G : zG} : zallG (zPm l G) 192 (zmtL.getD 12 []) := ⟨m_192, ⟨m_193, ⟨m_194, ⟨m_195, ⟨m_196, ⟨m_197, ⟨m_198, ⟨m_199, ⟨m_200, ⟨m_201, ⟨m_202, ⟨m_203, ⟨m_204, ⟨m_205, ⟨m_206, ⟨m_207, True.intro⟩⟩⟩⟩⟩⟩⟩⟩⟩⟩⟩⟩⟩⟩⟩⟩
theorem mm_13 {l : Launch} {G : zG} : zallG (zPm l G) 208 (zmtL.getD 13 []) := ⟨m_208, ⟨m_209, ⟨m_210, ⟨m_211, ⟨m_212, ⟨m_213, ⟨m_214, ⟨m_215, ⟨m_216, ⟨m_217, ⟨m_218, ⟨m_219, ⟨m_220, ⟨m_221, ⟨m_222, ⟨m_223, True.intro⟩⟩⟩⟩⟩⟩⟩⟩⟩⟩⟩⟩⟩⟩⟩⟩
theorem mm_14 {l : Launch} {G : zG} : zallG (zPm l G) 224 (zmtL.getD 14 []) := ⟨m_224, ⟨m_225, ⟨m_226, ⟨m_227, ⟨m_228, ⟨m_229, ⟨m_230, ⟨m_231, ⟨m_232, ⟨m_233, ⟨m_234, ⟨m_235, ⟨m_236, ⟨m_237, ⟨m_238, ⟨m_239, True.intro⟩⟩⟩⟩⟩⟩⟩⟩⟩⟩⟩⟩⟩⟩⟩⟩
theorem mm_15 {l : Launch} {G : zG} : zallG (zPm l G) 240 (zmtL.getD 15 []) := ⟨m_240, ⟨m_241, ⟨m_242, ⟨m_243, ⟨m_244, ⟨m_245, ⟨m_246, ⟨m_247, ⟨m_248, ⟨m_249, ⟨m_250, ⟨m_251, ⟨m_252, ⟨m_253, ⟨m_254, ⟨m_255, True.intro⟩⟩⟩⟩⟩⟩⟩⟩⟩⟩⟩⟩⟩⟩⟩⟩
theorem mm_16 {l : Launch} {G : zG} : zallG (zPm l G) 256 (zmtL.getD 16 []) := ⟨m_256, ⟨m_257, ⟨m_258, ⟨m_259, ⟨m_260, ⟨m_261, ⟨m_262, ⟨m_263, ⟨m_264, ⟨m_265, ⟨m_266, ⟨m_267, ⟨m_268, ⟨m_269, ⟨m_270, ⟨m_271, True.intro⟩⟩⟩⟩⟩⟩⟩⟩⟩⟩⟩⟩⟩⟩⟩⟩
theorem mm_17 {l : Launch} {G : zG} : zallG (zPm l G) 272 (zmtL.getD 17 []) := ⟨m_272, ⟨m_273, ⟨m_274, ⟨m_275, ⟨m_276, ⟨m_277, ⟨m_278, ⟨m_279, ⟨m_280, ⟨m_281, ⟨m_282, ⟨m_283, ⟨m_284, ⟨m_285, ⟨m_286, ⟨m_287, True.intro⟩⟩⟩⟩⟩⟩⟩⟩⟩⟩⟩⟩⟩⟩⟩⟩
theorem mm_18 {l : Launch} {G : zG} : zallG (zPm l G) 288 (zmtL.getD 18 []) := ⟨m_288, True.intro⟩
theorem mm_all {l : Launch} {G : zG} : zallG (fun j (c : List (List (List zO))) => ∀ i, zPm l G (16 * j + i) (c.getD i [])) 0 zmtL := ⟨fun i => by have q := zallG_at (P := zPm l G) (z := []) (fun _ => True.intro) (mm_0 (l := l) (G := G)) i; exact q, ⟨fun i => by have q := zallG_at (P := zPm l G) (z := []) (fun _ => True.intro) (mm_1 (l := l) (G := G)) i; exact q, ⟨fun i => by have q := zallG_at (P := zPm l G) (z := []) (fun _ => True.intro) (mm_2 (l := l) (G := G)) i; exact q, ⟨fun i => by have q := zallG_at (P := zPm l G) (z := []) (fun _ => True.intro) (mm_3 (l := l) (G := G)) i; exact q, ⟨fun i => by have q := zallG_at (P := zPm l G) (z := []) (fun _ => True.intro) (mm_4 (l := l) (G := G)) i; exact q, ⟨fun i => by have q := zallG_at (P := zPm l G) (z := []) (fun _ => True.intro) (mm_5 (l := l) (G := G)) i; exact q, ⟨fun i => by have q := zallG_at (P := zPm l G) (z := []) (fun _ => True.intro) (mm_6 (l := l) (G := G)) i; exact q, ⟨fun i => by have q := zallG_at (P := zPm l G) (z := []) (fun _ => True.intro) (mm_7 (l := l) (G := G)) i; exact q, ⟨fun i => by have q := zallG_at (P := zPm l G) (z := []) (fun _ => True.intro) (mm_8 (l := l) (G := G)) i; exact q, ⟨fun i => by have q := zallG_at (P := zPm l G) (z := []) (fun _ => True.intro) (mm_9 (l := l) (G := G)) i; exact q, ⟨fun i => by have q := zallG_at (P := zPm l G) (z := []) (fun _ => True.intro) (mm_10 (l := l) (G := G)) i; exact q, ⟨fun i => by have q := zallG_at (P := zPm l G) (z := []) (fun _ => True.intro) (mm_11 (l := l) (G := G)) i; exact q, ⟨fun i => by have q := zallG_at (P := zPm l G) (z := []) (fun _ => True.intro) (mm_12 (l := l) (G := G)) i; exact q, ⟨fun i => by have q := zallG_at (P := zPm l G) (z := []) (fun _ => True.intro) (mm_13 (l := l) (G := G)) i; exact q, ⟨fun i => by have q := zallG_at (P := zPm l G) (z := []) (fun _ => True.intro) (mm_14 (l := l) (G := G)) i; exact q, ⟨fun i => by have q := zallG_at (P := zPm l G) (z := []) (fun _ => True.intro) (mm_15 (l := l) (G := G)) i; exact q, ⟨fun i => by have q := zallG_at (P := zPm l G) (z := []) (fun _ => True.intro) (mm_16 (l := l) (G := G)) i; exact q, ⟨fun i => by have q := zallG_at (P := zPm l G) (z := []) (fun _ => True.intro) (mm_17 (l := l) (G := G)) i; exact q, ⟨fun i => by have q := zallG_at (P := zPm l G) (z := []) (fun _ => True.intro) (mm_18 (l := l) (G := G)) i; exact q, True.intro⟩⟩⟩⟩⟩⟩⟩⟩⟩⟩⟩⟩⟩⟩⟩⟩⟩⟩⟩
theorem zsnd_all {l : Launch} {G : zG} (mi pc : Nat) : zSnd l G mi pc (zget (zmt mi) pc o_bad) := by
  have h := zallG_at (P := fun j (c : List (List (List zO))) => ∀ i, zPm l G (16 * j + i) (c.getD i [])) (z := []) (fun j i => True.intro) (mm_all (l := l) (G := G)) (mi / 16) (mi % 16)
  rw [show 16 * (0 + mi / 16) + mi % 16 = mi by omega] at h
  exact zall_get (fun pc => s_bad) h pc
/-- what the small machine does, the JVM does -/
theorem zsound {l : Launch} {G : zG} {d mi uc us pc : Nat} {ls : zL} {st : List zV} {σ : zM} {Q : zQ} (h : WP d mi uc us pc ls st σ Q) : zGo l G d mi uc us pc ls st σ Q :=
  h (zGo l G) (fun d mi uc us pc ls st σ Q hT => by
    obtain ⟨call, k, h1, h2, h3⟩ := hT
    exact zsnd_all mi pc d uc us call k Q ls st σ h3 h1 h2)
/-- the constant cells, by the script -/
def zMs (L : Nat) (xs : Nat → Int32) (c : Nat) (k : Int) : Int := match c with
  | 1 => if k = -1 then (L : Int) else if 0 ≤ k ∧ k < L then (xs k.toNat).toInt else 0
  | 2 => if k = -1 then 4 else if k = 1 then 1 else 0
  | 3 => if k = -1 then 4 else if k = 0 then 300 else if k = 1 then 50 else if k = 2 then 3 else if k = 3 then 500 else 0
  | 4 => if k = -1 then 4 else if k = 0 then 100 else if k = 1 then 10 else if k = 2 then 1 else if k = 3 then 100 else 0
  | 10 => if k = -1 then 3 else ([102, 117, 110] : List Int).getD k.toNat 0
  | 11 => if k = -1 then 2 else ([105, 102] : List Int).getD k.toNat 0
  | 12 => if k = -1 then 4 else ([101, 108, 115, 101] : List Int).getD k.toNat 0
  | 13 => if k = -1 then 4 else ([108, 111, 111, 112] : List Int).getD k.toNat 0
  | 14 => if k = -1 then 4 else ([103, 105, 118, 101] : List Int).getD k.toNat 0
  | _ => 0
theorem zM0_eq (G : zG) : zM0 G = zMs G.1.2.1 G.1.2.2 := rfl
def zσ0 (L : Nat) (xs : Nat → Int32) : zM := (fun _ _ => 0, fun _ _ => 0, zMs L xs, 16)
/-- what is left to show: a walk of the small machine -/
def zOwed (N : Nat) : Prop := ∀ (L : Nat) (xs : Nat → Int32), L ≤ N → WP 1000 0 0 0 0 (zen 0 [vR 1]) [] (zσ0 L xs) (fun _ r => r = some (vI 1))
