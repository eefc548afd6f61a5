/-! ===== runs that end, row by row ===== -/
def Ends (call : Nat → List Value → UH → UR → Prop) (code : Nat → Option UI) (x : UC) (res : UR → Prop) : Prop := ∃ n q, Ux call code n x q ∧ res q
theorem u_fg_rf (L : List (Option Value)) : u_fg L L := ⟨rfl, fun _ _ h => h⟩
section EndsRows
variable {call : Nat → List Value → UH → UR → Prop} {code : Nat → Option UI} {pc : Nat} {L L' : List (Option Value)} {st : List Value} {h : UH} {res : UR → Prop} {i : UI} {y : UC}
theorem en_step (hc : code pc = some i) (hs : ustep i (pc, L, st, h) = some (.inl y)) (k : Ends call code y res) : Ends call code (pc, L, st, h) res := by
  obtain ⟨n, q, hn, hq⟩ := k
  exact ⟨n + 1, q, ⟨L, u_fg_rf L, i, hc, Or.inl ⟨y, hs, hn⟩⟩, hq⟩
theorem en_ret {q : UR} (hc : code pc = some i) (hs : ustep i (pc, L, st, h) = some (.inr q)) (hq : res q) : Ends call code (pc, L, st, h) res := ⟨1, q, ⟨L, u_fg_rf L, i, hc, Or.inr (Or.inl hs)⟩, hq⟩
theorem en_call {mi : Nat} {as r : List Value} {v : Option Value} {h' : UH} (hc : code pc = some i) (hu : ucall i st h = some (mi, as, r)) (hk : call mi as h (v, h')) (k : Ends call code (pc + 3, L, v.toList ++ r, h') res) : Ends call code (pc, L, st, h) res := by
  obtain ⟨n, q, hn, hq⟩ := k
  exact ⟨n + 1, q, ⟨L, u_fg_rf L, i, hc, Or.inr (Or.inr ⟨mi, as, r, v, h', hu, hk, hn⟩)⟩, hq⟩
theorem en_fg (hf : u_fg L L') (k : Ends call code (pc, L', st, h) res) : Ends call code (pc, L, st, h) res := by
  obtain ⟨n, q, hn, hq⟩ := k
  match n, hn with
  | 0, hn => exact hn.elim
  | n + 1, hn =>
    obtain ⟨L2, hg, rest⟩ := hn
    exact ⟨n + 1, q, ⟨L2, ⟨hg.1.trans hf.1, fun j v hv => hf.2 j v (hg.2 j v hv)⟩, rest⟩, hq⟩
end EndsRows
/-- some steps at once -/
def usteps (code : Nat → Option UI) : Nat → UC → Option UC
  | 0, x => some x
  | n + 1, x => match code x.1 with
    | some i => match ustep i x with
      | some (.inl y) => usteps code n y
      | _ => none
    | none => none
theorem en_steps {call : Nat → List Value → UH → UR → Prop} {code : Nat → Option UI} {res : UR → Prop} : ∀ (n : Nat) {x y : UC}, usteps code n x = some y → Ends call code y res → Ends call code x res
  | 0, x, y, hs, k => by cases hs; exact k
  | n + 1, (pc, L, st, h), y, hs, k => by
    unfold usteps at hs
    split at hs
    · rename_i i hc
      split at hs
      · rename_i z hz
        exact en_step hc hz (en_steps n hs k)
      · cases hs
    · cases hs
/-- a stretch of instructions, written out -/
def usegs : List (Nat × UI) → UC → Option UC
  | [], x => some x
  | (p, i) :: r, x => if p = x.1 then match ustep i x with
      | some (.inl y) => usegs r y
      | _ => none
    else none
def u_sub (l : List (Nat × UI)) (kl : List (Nat × UI × Nat)) : Bool := l.all (fun e => decide (u_at kl e.1 = some e.2))
theorem en_segs {call : Nat → List Value → UH → UR → Prop} {kl : List (Nat × UI × Nat)} {res : UR → Prop} : ∀ (l : List (Nat × UI)) {x y : UC}, u_sub l kl = true → usegs l x = some y → Ends call (u_at kl) y res → Ends call (u_at kl) x res
  | [], x, y, _, hs, k => by cases hs; exact k
  | (p, i) :: r, (pc, L, st, h), y, hu, hs, k => by
    unfold u_sub at hu
    rw [List.all_cons, Bool.and_eq_true] at hu
    have hc := of_decide_eq_true hu.1
    unfold usegs at hs
    split at hs
    · rename_i e
      dsimp only at e hc
      subst e
      split at hs
      · rename_i z hz
        exact en_step hc hz (en_segs r hu.2 hs k)
      · cases hs
    · cases hs
/-! methods of the two classes and of the library, by their numbers -/
def kls : List (List (Nat × UI × Nat)) := [kl_0, kl_1, kl_2, kl_3, kl_4, kl_5, kl_6, kl_7, kl_8, kl_9, kl_10, kl_11, kl_12, kl_13, kl_14, kl_15, kl_16, kl_17, kl_18, kl_19, kl_20, kl_21, kl_22, kl_23, kl_24, kl_25, kl_26, kl_27, kl_28, kl_29, kl_30, kl_31, kl_32, kl_33, kl_34, kl_35, kl_36, kl_37, kl_38, kl_39, kl_40, kl_41, kl_42, kl_43, kl_44, kl_45, kl_46, kl_47, kl_48, kl_49, kl_50, kl_51, kl_52, kl_53, kl_54, kl_55, kl_56, kl_57, kl_58, kl_59, kl_60, kl_61, kl_62, kl_63, kl_64, kl_65, kl_66, kl_67, kl_68, kl_69, kl_70, kl_71, kl_72, kl_73, kl_74, kl_75, kl_76, kl_77, kl_78, kl_79, kl_80, kl_81, kl_82, kl_83, kl_84, kl_85, kl_86, kl_87, kl_88, kl_89, kl_90, kl_91, kl_92, kl_93, kl_94, kl_95, kl_96, kl_97, kl_98, kl_99, kl_100, kl_101, kl_102, kl_103, kl_104, kl_105, kl_106, kl_107, kl_108, kl_109, kl_110, kl_111, kl_112, kl_113, kl_114, kl_115, kl_116, kl_117, kl_118, kl_119, kl_120, kl_121, kl_122, kl_123, kl_124, kl_125, kl_126, kl_127, kl_128, kl_129, kl_130, kl_131, kl_132, kl_133, kl_134, kl_135, kl_136, kl_137, kl_138, kl_139, kl_140, kl_141, kl_142, kl_143, kl_144, kl_145, kl_146, kl_147, kl_148, kl_149, kl_150, kl_151, kl_152, kl_153, kl_154, kl_155, kl_156, kl_157, kl_158, kl_159, kl_160, kl_161, kl_162, kl_163, kl_164, kl_165, kl_166, kl_167, kl_168, kl_169, kl_170, kl_171, kl_172, kl_173, kl_174, kl_175, kl_176, kl_177, kl_178, kl_179, kl_180, kl_181, kl_182, kl_183, kl_184, kl_185, kl_186, kl_187, kl_188, kl_189, kl_190, kl_191, kl_192, kl_193, kl_194, kl_195, kl_196, kl_197, kl_198, kl_199, kl_200, kl_201, kl_202, kl_203, kl_204, kl_205, kl_206, kl_207, kl_208, kl_209, kl_210, kl_211, kl_212, kl_213, kl_214, kl_215, kl_216, kl_217, kl_218, kl_219, kl_220, kl_221, kl_222, kl_223, kl_224, kl_225, kl_226, kl_227, kl_228, kl_229, kl_230, kl_231, kl_232, kl_233, kl_234, kl_235, kl_236, kl_237, kl_238, kl_239, kl_240, kl_241, kl_242, kl_243, kl_244, kl_245, kl_246, kl_247, kl_248, kl_249, kl_250, kl_251, kl_252, kl_253, kl_254, kl_255, kl_256, kl_257, kl_258, kl_259, kl_260, kl_261, kl_262, kl_263, kl_264, kl_265, kl_266, kl_267, kl_268, kl_269, kl_270, kl_271, kl_272, kl_273, kl_274, kl_275, kl_276, kl_277, kl_278, kl_279, kl_280, kl_281, kl_282, kl_283, kl_284, kl_285, kl_286, kl_287, kl_288, kl_289, kl_290, kl_291, kl_292, kl_293, kl_294, kl_295, kl_296, kl_297, kl_298, kl_299, kl_300, kl_301, kl_302, kl_303, kl_304, kl_305, [], kl_307, kl_308, kl_309, kl_310, kl_311]
def u_cd (mi pc : Nat) : Option UI := u_at (kls.getD mi []) pc
/-- what the two methods do that are walked by hand (part 88): copyOf, wordIn -/
def sp_copy (as : List Value) (h : UH) (res : UR) : Prop := ∃ (a : Nat) (n : Int32) (n0 : Nat) (f : Nat → Int32), as = [.ref a, .int n] ∧ h.1 a = .inl (1, n0, .inl f) ∧ ¬ n < 0 ∧ n.toNatClampNeg ≤ 1000 ∧ n0 ≤ 1000 ∧ res = (some (.ref h.2.1), u_new h (.inl (1, n.toNatClampNeg, .inl (fun j => if j < n0 then f j else 0))) n.toNatClampNeg)
