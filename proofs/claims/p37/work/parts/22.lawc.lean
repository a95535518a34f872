/-- THE LAW, OUT OF A RUN OF THE ABSTRACT MACHINE -/
def AH0 : AH := (0, 0, fun _ => (0, 0), fun _ _ => 0, fun _ _ => 0, fun _ _ => none)
theorem law_start {p : Program} {e : Env} {s : State} {m : MethodId} {below : List Frame} {meth : Method} {c : Code} (l : Launch) (hflags : l.flags = flags0) {b L : Nat} {xs : Nat → Int32} (C0 : lw_At p s m meth c b L xs) {d : Nat} (hd : d ≤ 1000) {h' : AH} (hc : ah_n h' ≤ 646552) (hu : ah_u h' ≤ 7161968) (hrun : Rx (xs, L) (d + 1) LAWN [scr] AH0 (.inl (some (.int 1))) h') :
    W p l e room_1 s m #[Value.ref b] below meth c s.heap [] 0 0 (lw_Z below #[Value.ref b] s) (entryFrame m ([Value.ref b] : List Value).toArray 6) := by
  obtain ⟨hx, hb, hr, hml, hown, hts, hX, hbl, hlocks, hgv⟩ := id C0
  obtain ⟨D, hE⟩ := EV_start hts hgv
  have hl0 : l.stackTraces = false := by
    unfold Launch.stackTraces
    rw [hflags]
    decide +kernel
  obtain ⟨z1, z2, z3, z4, z5⟩ := zq_ok
  have hs := flat_of_before _ hgv
  have hA : ∀ a : Nat, a < s.heap.size → ¬ s.heap.size ≤ a := fun a h => Nat.not_le.mpr h
  have hv : HV D s.heap.size b (xs, L) s s.heap AH0 := ⟨hbl, hX, vx_Zqof (hts _ z1) (hts _ z3) (hs _ z4) hA, vx_Zqof (hts _ z2) (hts _ z3) (hs _ z5) hA, rfl, fun a ha => absurd ha (Nat.not_lt_zero _)⟩
  obtain ⟨-, n, H⟩ := hrun
  have hm6 : mL LAWN = 6 := by decide +kernel
  rw [hm6] at H
  have hP0 : (ppo LAWN)[0]? = some 0 := by decide +kernel
  have hk : ∀ v ∈ [scr], knw v = true := by decide
  have k := law_run (e := e) (below := below) (b := b) hx hb hml hr hlocks hown hE rfl (sound l hl0 D s.heap.size b (xs, L) d) hd hc hu n 0 _ [] AH0 H 0 hP0 s.heap [] _ hv vaS_rf (ent_LR hk (by decide))
  rw [lg_entry_eq]
  exact k
