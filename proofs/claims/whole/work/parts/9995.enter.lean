/-! ===== the empty world at the law's entry ===== -/
/-- a heap of no made objects: nn lengths, ii ints of what was there before -/
def XEm (nn : Nat → Nat → Nat) (ii : Nat → Nat → Nat → Int32) : XH := ((fun _ => 0), nn, (fun s i k => bif Nat.blt s 500 then 0 else ii s i k), (fun _ _ _ => 0), (fun _ _ _ => none))
theorem XEm_rep {D : va_G} {n0 : Nat} {ad : XO → Nat} {nn : Nat → Nat → Nat} {ii : Nat → Nat → Nat → Int32} {U : State} {H : Heap} (hK : va_K D vwCl [] U) : XRep D n0 [] ad (XEm nn ii) U H := by
  refine ⟨fun _ => D.1 0, fun o => ⟨fun h => (List.not_mem_nil h).elim, fun h => absurd h (Nat.not_lt_zero _)⟩, List.nodup_nil, fun _ _ => rfl, fun k q h => (List.not_mem_nil (List.mem_of_getElem? h)).elim, ⟨fun i j p q h => (List.not_mem_nil (List.mem_of_getElem? h)).elim, fun k q h => (List.not_mem_nil (List.mem_of_getElem? h)).elim⟩, hK, fun o ho => (List.not_mem_nil ho).elim, fun s i k hs _ => ⟨?_, rfl, rfl⟩, fun s i k r h => absurd (show (none : Option XO) = some r from h) (fun z => by cases z)⟩
  show (bif Nat.blt s 500 then (0 : Int32) else ii s i k) = 0
  have : Nat.blt s 500 = true := Nat.ble_eq_true_of_le hs
  rw [this]
  rfl
