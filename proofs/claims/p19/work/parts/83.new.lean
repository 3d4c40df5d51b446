theorem SC_new : SC I_new := ⟨(show rg (0 : Int32) (0) (51) from ⟨by decide, by decide⟩), (show rg (0 : Int32) (0) (8) from ⟨by decide, by decide⟩), (show rg (0 : Int32) (0) (100) from ⟨by decide, by decide⟩), (show rg (0 : Int32) (0) (70) from ⟨by decide, by decide⟩), (show rg (0 : Int32) (0) (60) from ⟨by decide, by decide⟩), (fun j => (show rg (0 : Int32) (0) (7) from ⟨by decide, by decide⟩)), ⟨(show rg (0 : Int32) (0) (6) from ⟨by decide, by decide⟩), (fun j => (show rg (0 : Int32) (0) (59) from ⟨by decide, by decide⟩)), (fun j => ⟨(show rg (0 : Int32) (0) (20000) from ⟨by decide, by decide⟩), (show rg (0 : Int32) (0) (2000) from ⟨by decide, by decide⟩)⟩), (fun j hj => absurd (show (j : Int) < (0 : Int32).toInt from hj) (by have : (0 : Int32).toInt = 0 := (by decide); omega))⟩, ⟨(fun j => (show mg_of (0 : Int32) (0 : Int32) from ⟨by decide, Or.inl (by decide)⟩)), (fun j => (show mg_of (0 : Int32) (0 : Int32) from ⟨by decide, Or.inl (by decide)⟩))⟩, ⟨(show rg (-1 : Int32) (-1) 2 from ⟨by decide, by decide⟩), (show rg (0 : Int32) (0) (60) from ⟨by decide, by decide⟩)⟩, ⟨(show rg (-1 : Int32) (-1) 2 from ⟨by decide, by decide⟩), (show rg (0 : Int32) (0) (60) from ⟨by decide, by decide⟩)⟩, ⟨(show rg (-1 : Int32) (-1) 2 from ⟨by decide, by decide⟩), (show rg (0 : Int32) (0) (60) from ⟨by decide, by decide⟩)⟩, ⟨(show rg (-1 : Int32) (-1) 2 from ⟨by decide, by decide⟩), (show rg (0 : Int32) (0) (60) from ⟨by decide, by decide⟩)⟩⟩
theorem SM_new : SM I_new := ⟨(show rg (0 : Int32) (0) (51) from ⟨by decide, by decide⟩), (show rg (0 : Int32) (0) (8) from ⟨by decide, by decide⟩), (show rg (0 : Int32) (0) (100) from ⟨by decide, by decide⟩), (show rg (0 : Int32) (0) (70) from ⟨by decide, by decide⟩), (show rg (0 : Int32) (0) (60) from ⟨by decide, by decide⟩), (fun j => (show rg (0 : Int32) (0) (7) from ⟨by decide, by decide⟩)), ⟨(show rg (0 : Int32) (0) (6) from ⟨by decide, by decide⟩), (fun j => (show rg (0 : Int32) (0) (59) from ⟨by decide, by decide⟩)), (fun j => ⟨(show rg (0 : Int32) (0) (20000) from ⟨by decide, by decide⟩), (show rg (0 : Int32) (0) (2000) from ⟨by decide, by decide⟩)⟩), (fun j hj => absurd (show (j : Int) < (0 : Int32).toInt from hj) (by have : (0 : Int32).toInt = 0 := (by decide); omega))⟩, ⟨(fun j => (show rg (if 0 ≤ j ∧ j < 4 then (-1 : Int32) else 0) (-1) 2 by split; exact ⟨by decide, by decide⟩; exact ⟨by decide, by decide⟩)), (fun j => (show rg (0 : Int32) (0) (60) from ⟨by decide, by decide⟩))⟩, (fun j => ⟨(show rg (0 : Int32) (0) (7) from ⟨by decide, by decide⟩), (show rg (0 : Int32) (0) (7) from ⟨by decide, by decide⟩)⟩), ⟨(fun j hj => absurd (show (j : Int) < (0 : Int32).toInt from hj) (by have : (0 : Int32).toInt = 0 := (by decide); omega)), (show rg (0 : Int32) (0) (1000000) from ⟨by decide, by decide⟩)⟩⟩
theorem LR_new : LR I_new := ⟨rfl, rfl, rfl, rfl, rfl, ⟨rfl, rfl, rfl, rfl, rfl, rfl⟩, ⟨rfl, rfl, rfl, rfl, rfl⟩, (fun s hs => by
  rcases fin4 hs with rfl | rfl | rfl | rfl
  · exact ⟨rfl, rfl⟩
  · exact ⟨rfl, rfl⟩
  · exact ⟨rfl, rfl⟩
  · exact ⟨rfl, rfl⟩), (fun s hs j hj => by
  rcases fin4 hs with rfl | rfl | rfl | rfl
  · rfl
  · rfl
  · rfl
  · rfl), (fun j => by
  show mcl (if 0 ≤ j ∧ j < 60 then (-1 : Int32) else 0) = (if 0 ≤ j ∧ j < 60 then (-1 : Int32) else 0)
  split
  · decide
  · decide)⟩
