theorem wd_0 : Jvm.Free.Multi.innerC = Jvm.Free.Multi.innerC := rfl
