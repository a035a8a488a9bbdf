/-! the rules' names: an array of four texts, for a while -/
def RSA (s : State) (ar : Nat) (f : Nat → Value) (H : Heap) : Prop := ∃ (cS : ClassId) (kA : Class) (comp : ClassId), s.vm.classes[cS]? = some kA ∧ kA.kind = .array comp (.object "java/lang/String") ∧ s.vm.findClass "java/lang/String" = some comp ∧ H[ar]? = some (arrV cS 4 f)
theorem RSA.kept {s : State} {ar : Nat} {f : Nat → Value} {H H1 : Heap} (h : RSA s ar f H) (hq : H1[ar]? = H[ar]?) : RSA s ar f H1 := by
  obtain ⟨a, b, c, h1, h2, h3, h4⟩ := h
  exact ⟨a, b, c, h1, h2, h3, hq.trans h4⟩
section NRU
variable {p : Program} {l : Launch} {e : Env} {R : Room} {s : State} {m : MethodId} {args : Array Value} {below : List Frame} {meth : Method} {c : Code} {H : Heap} {locs : List Loc} {cells slots : Nat} {Q : State → Prop}
variable {own : String} {cc : ByteArray} {nL : Nat} {D DJ : va_G} {cA : Nat → ClassId} {B : BA} {S A X : Nat → Prop} {b ar : Nat} {σ σ' : GS} {pc : Nat} {ls : Array Slot} {rest : List Value} {idx i k ci : Nat} {f : Nat → Value}
theorem NW.less {Y : Nat → Prop} (w : NW D DJ cA B S A X b σ s H locs) (hY : ∀ q, Y q → X q) (hS : ∀ q, AB B S q → Y q) : NW D DJ cA B S A Y b σ s H locs := by
  obtain ⟨w1, ⟨a, N, t, f, hB, hN, ht, e0, e1, hb, ha, hXb, hXa⟩, hA, hKJ, hX, hXz, h450⟩ := w
  exact ⟨w1, ⟨a, N, t, f, hB, hN, ht, e0, e1, hb, ha, fun z => hXb (hY _ z), fun z => hXa (hY _ z)⟩, hA, hKJ, hS, fun q hq => hXz q (hY q hq), h450⟩
/-- new String[4] -/
theorem nw_anew (C : Cx p s m args c meth RL cc nL D cA B) (w : NW D DJ cA B S A X b σ s H locs) (hc : cells + 1 ≤ R.cells) (hs : slots + 4 ≤ R.slots) (hd : decode cc pc = .ok (.anewarray 8, 3))
    (kk : ∀ (H1 : Heap) (ar : Nat), B.2 ≤ ar → NW D DJ cA B S A (fun q => X q ∨ q = ar) b σ s H1 locs → RSA s ar (fun _ => .null) H1 → ¬ AB B S ar → W p l e R s m args below meth c H1 locs (cells + 1) (slots + 4) Q (F0 m (pc + 3) ls (.ref ar :: rest))) : W p l e R s m args below meth c H locs cells slots Q (F0 m pc ls (.int 4 :: rest)) := by
  obtain ⟨w1, ⟨a, N, t, f, hB, hN, ht, e0, e1, hb, ha, hXb, hXa⟩, hA, hKJ, hX, hXz, h450⟩ := w
  refine W.anew C.1 C.2.1 (own := RL) (C := "java/lang/String") C.2.2.2.1 (C.2.2.2.2.1 _ wj_847) (va_AO.use hKJ.2.1.2.2) rfl hd rfl (by decide) (by decide) hc hs fun cS kA comp h1 h2 h3 h4 => ?_
  generalize hH1 : H.push { cls := cS, slots := Array.replicate (4 : Int32).toNatClampNeg .null, vm := .none } = H1
  have z1 : H1.size = H.size + 1 := by rw [← hH1, Array.size_push]
  have g1 : H1[H.size]? = some (arrV cS 4 (fun _ => .null)) := by rw [← hH1, Array.getElem?_push_size, ← arrV_new]; rfl
  have o1 : ∀ q : Nat, q < H.size → H1[q]? = H[q]? := fun q hq => by rw [← hH1, Array.getElem?_push, if_neg (Nat.ne_of_lt hq)]
  have hab : ¬ AB B S H.size := fun z => Nat.lt_irrefl _ (hXz _ (hX _ z))
  exact kk H1 H.size (Nat.le_trans C.2.2.2.2.2.2.2.1 w1.2.2.1.1) ⟨w1.text (fun i _ => EqC.refl) (fun i hi => o1 _ (hXz _ (hX _ ⟨i, hi, rfl⟩))) (va_S.new w1.2.2.1 z1 o1), ⟨a, N, t, f, hB.kept o1, hN, ht, e0, e1, hb, ha, fun z => z.elim hXb (Nat.ne_of_lt (tOB_lt hB.1)), fun z => z.elim hXa (Nat.ne_of_lt (Array.getElem?_eq_some_iff.mp hB.2.1).1)⟩, hA, hKJ, fun q hq => Or.inl (hX q hq), fun q hq => by
    rcases hq with hq | hq
    · have := hXz q hq
      omega
    · omega, h450⟩ ⟨cS, kA, comp, h2, h3, h4, g1⟩ hab
theorem nw_aastS {t : Nat} {j : Int32} (C : Cx p s m args c meth RL cc nL D cA B) (w : NW D DJ cA B S A X b σ s H locs) (hr : RSA s ar f H) (hXr : X ar) (hab : ¬ AB B S ar) (hrB : B.2 ≤ ar) (ht : t < strL.length) (h0 : ¬ j < 0) (h4 : j.toNatClampNeg < 4) (hd : decode cc pc = .ok (.aastore, 1))
    (kk : ∀ (H1 : Heap) (locs1 : List Loc), NW D DJ cA B S A X b σ s H1 locs1 → RSA s ar (updV f j.toNatClampNeg (.ref (D.2 100 t))) H1 → W p l e R s m args below meth c H1 locs1 cells slots Q (F0 m (pc + 1) ls rest)) : W p l e R s m args below meth c H locs cells slots Q (F0 m pc ls (.ref (D.2 100 t) :: .int j :: .ref ar :: rest)) := by
  obtain ⟨cS, kA, comp, r1, r2, r3, r4⟩ := hr
  obtain ⟨cv, v1, v2, v3, -⟩ := (C.2.2.2.2.2.2.2.2.2.2.at ht).1.kept w.1.wide.2.1
  obtain ⟨kC, hkC, -⟩ := Vm.findClass_spec r3
  have hcls : cv.cls = comp := Option.some.inj (v3.symm.trans r3)
  refine W.aast C.1 C.2.1 r4 (fun q h => by cases h) (fun h => by cases h) r1 r2 rfl hkC ⟨h0, by rw [arrV_size]; exact h4⟩ v1 (fun q h => by rw [h] at v2; cases v2) (by rw [hcls]; exact hkC) (by rw [hcls]; exact va_asg _ _) rfl rfl hd fun H1 e1 z oq => ?_
  refine kk H1 _ ?_ ⟨cS, kA, comp, r1, r2, r3, by rw [e1, arrV_store]⟩
  have hA := w.2.2.1 ar hrB
  refine ⟨w.1.text (fun i _ => EqC.refl) (fun i hi => oq _ (fun z => hab ⟨i, hi, z.symm⟩)) (w.1.2.2.1.put z oq hA), ?_, w.2.2.1, w.2.2.2.1, w.2.2.2.2.1, fun q hq => by rw [z]; exact w.2.2.2.2.2.1 q hq, w.2.2.2.2.2.2⟩
  exact w.2.1.same rfl (fun _ => rfl) (fun q _ hq => oq q (fun z => hq (z ▸ hXr)))
theorem nw_aaldS {t : Nat} {j : Int32} (C : Cx p s m args c meth RL cc nL D cA B) (hr : RSA s ar f H) (h0 : ¬ j < 0) (h4 : j.toNatClampNeg < 4) (hv : f j.toNatClampNeg = .ref (D.2 100 t)) (hd : decode cc pc = .ok (.aaload, 1))
    (kk : W p l e R s m args below meth c H locs cells slots Q (F0 m (pc + 1) ls (.ref (D.2 100 t) :: rest))) : W p l e R s m args below meth c H locs cells slots Q (F0 m pc ls (.int j :: .ref ar :: rest)) := by
  obtain ⟨cS, kA, comp, r1, r2, r3, r4⟩ := hr
  exact W.aald (v := .ref (D.2 100 t)) (ty := .object "java/lang/String") C.1 C.2.1 r4 ⟨(fun q h => by cases h), kA, r1, comp, r2⟩ rfl (fun q => by cases q) (fun z => z.elim h0 (fun z => Nat.not_lt.mpr (by rw [arrV_size] at z; exact z) h4)) ((arrV_read _ _ h4).trans (by rw [hv])) rfl rfl hd kk
end NRU
