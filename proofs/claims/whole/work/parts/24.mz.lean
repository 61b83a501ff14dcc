def Mz : MemT := (fun _ => 9, fun _ => 0, 0, fun _ _ => none, fun _ _ => 0, fun _ _ => 0)
