section ZTI
variable {p : Program} {l : Launch} {e : Env} {R : Room} {s : State} {m : MethodId} {args : Array Value} {below : List Frame} {meth : Method} {c : Code} {H : Heap} {locs : List Loc} {cells slots : Nat} {Q : State → Prop}
/-- the elements of the cells that are new since s -/
def zNew (s : State) (H : Heap) : Nat := ((H.toList.drop s.heap.size).map (·.slots.size)).sum
/-- what was made is what the heap has that is new: the counts may be told anew out of the heap, whatever the contracts of the calls before allowed -/
theorem z_tight {k n : Nat} {g : JFrame} (h1 : H.size ≤ s.heap.size + k) (h2 : zNew s H ≤ n) (kk : W p l e R s m args below meth c H locs k n Q g) : W p l e R s m args below meth c H locs cells slots Q g := by
  intro T hT X
  refine kk T hT ?_
  obtain ⟨e1, e2, e3, e4, e5, e6⟩ := X.same
  have hh : (T.setVm s.vm).heap = H := hT
  rw [hh] at e5
  exact { X with same := ⟨e1, e2, by rw [hh]; exact h1, e4, by rw [hh]; exact h2, e6⟩ }
end ZTI
