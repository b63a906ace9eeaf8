-- still owed

