def em : Mem := (fun _ _ _ => 0, fun _ _ _ => 0, fun _ _ _ => none, fun _ _ => false)
