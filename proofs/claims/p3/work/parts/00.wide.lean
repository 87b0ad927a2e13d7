theorem lw_wide : True := have _h := @Jvm.Free.Multi.fill_old; True.intro
